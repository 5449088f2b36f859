theorem tst1 : goodWord (.castable "a" "b") = true := by decide
theorem tst2 : goodWord (.methodLinkNest "a" 3 ⟨"a", "b", "c"⟩ "h") = true := by decide
theorem tst3 : goodWord (.fieldLinkNest "a" 3 "a" "b" "c" "h") = true := by decide
theorem tst4 : goodWord (.sameField "a" "a" "b" "c") = true := by decide
theorem tst5 : goodWord (.selects "a" ⟨"a", "b", "c"⟩ ⟨"a", "b", "c"⟩) = true := by decide
theorem tst6 : goodWord (.codeWith ⟨"a", "b", "c"⟩ ⟨#[]⟩ 2 none []) = true := by decide
theorem tst7 : goodWord (.static ⟨"a", "b", "c"⟩) = true := by decide
theorem tst8 : goodWord (.classLink "a" 3 "b") = true := by decide
theorem tst9 : goodWord (.instantiable "a" 3) = true := by decide
theorem tst10 : goodWord (.initialized "a") = true := by decide
theorem tst11 : goodWord (.arrayOver .int) = true := by decide
theorem tst12 : goodWord (.stringRef "a" 3 "b") = true := by decide

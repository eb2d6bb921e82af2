example : goodWord (.initialized "a") = true := by decide +kernel
example : goodWord (.classLink "a" 1 "b") = true := by decide +kernel
example : goodWord (.instantiable "a" 1) = true := by decide +kernel
example : goodWord (.methodLink "a" 1 yX0_put) = true := by decide +kernel
example : goodWord (.instanceMethod yX0_put) = true := by decide +kernel
example : goodWord (.code yX0_put cX0_put 1 none) = true := by decide +kernel
example : goodWord (.arrayOver (.object "a")) = true := by decide +kernel
example : goodWord (.methodLinkNest "a" 1 yX0_put "b") = true := by decide +kernel
example : goodWord (.fieldLink "a" 1 "b" "c" "d") = true := by decide +kernel
example : goodWord (.fieldLinkNest "a" 1 "b" "c" "d" "e") = true := by decide +kernel
example : goodWord (.laysFinal "a" "b" "c" "d") = true := by decide +kernel
example : goodWord (.soleField "a" "b") = true := by decide +kernel
example : goodWord (.lays "a" "b" "c" "d") = true := by decide +kernel
example : goodWord (.superclass "a" "b") = true := by decide +kernel
example : goodWord (.arrayClass .int) = true := by decide +kernel
example : goodWord (.selects "a" yX0_put yX0_put) = true := by decide +kernel
example : goodWord (.privateMethod yX0_put) = true := by decide +kernel
example : goodWord (.static yX0_put) = true := by decide +kernel
example : goodWord (.constant "a" 1 4) = true := by decide +kernel
example : goodWord (.constantLong "a" 1 4) = true := by decide +kernel
example : lw_tbl.length = 1028 := by decide +kernel

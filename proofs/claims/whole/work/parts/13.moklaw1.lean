/-! the law is what its bytes say, part 1 -/
theorem mokl_2 : (((mE mi_145).drop 140).take 70).all (eokx mi_145) = true := by decide +kernel
theorem mokl_3 : (((mE mi_145).drop 210).take 70).all (eokx mi_145) = true := by decide +kernel

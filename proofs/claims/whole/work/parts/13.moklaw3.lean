/-! the law is what its bytes say, part 3 -/
theorem mokl_6 : (((mE mi_145).drop 420).take 70).all (eokx mi_145) = true := by decide +kernel
theorem mokl_7 : (((mE mi_145).drop 490).take 70).all (eokx mi_145) = true := by decide +kernel

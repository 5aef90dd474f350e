/-! the law is what its bytes say, part 0 -/
theorem mokl_0 : (((mE mi_145).drop 0).take 70).all (eokx mi_145) = true := by decide +kernel
theorem mokl_1 : (((mE mi_145).drop 70).take 70).all (eokx mi_145) = true := by decide +kernel

/-! the law is what its bytes say, part 2 -/
theorem mokl_4 : (((mE mi_145).drop 280).take 70).all (eokx mi_145) = true := by decide +kernel
theorem mokl_5 : (((mE mi_145).drop 350).take 70).all (eokx mi_145) = true := by decide +kernel

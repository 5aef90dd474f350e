/-! the law is what its bytes say, part 4 -/
theorem mokl_8 : (((mE mi_145).drop 560).take 70).all (eokx mi_145) = true := by decide +kernel
theorem mokl_9 : (((mE mi_145).drop 630).take 70).all (eokx mi_145) = true := by decide +kernel

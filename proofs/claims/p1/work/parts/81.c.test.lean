theorem tb_1 : atG.all (fun w => goodWord w) = true := by decide +kernel
theorem tb_2 : atG.all (fun w => goodWord w || (match w with | .superclass .. => true | _ => false)) = true := by decide +kernel
theorem tb_3 : atG.all (fun w => goodWord w || (match w with | .superclass .. => true | .declares .. => true | _ => false)) = true := by decide +kernel
theorem tb_4 : atG.all (fun w => goodWord w || (match w with | .declares .. => true | _ => false)) = true := by decide +kernel
theorem tb_5 : atG.all (fun w => goodWord w || (match w with | .castable .. => true | .selects .. => true | .superclass .. => true | .declares .. => true | _ => false)) = true := by decide +kernel

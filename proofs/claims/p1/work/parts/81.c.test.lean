theorem tb_1 : atG.all (fun w => goodWord w || (match w with | .castable .. => true | .declares .. => true | _ => false)) = true := by decide +kernel
theorem tb_2 : atG.all (fun w => goodWord w || (match w with | .castable .. => true | _ => false)) = true := by decide +kernel
theorem tb_3 : atG.all (fun w => goodWord w || (match w with | .castable .. => true | .superclass .. => true | _ => false)) = true := by decide +kernel
theorem tb_4 : bdG = [Cond.castable nsE nsE] := by decide +kernel

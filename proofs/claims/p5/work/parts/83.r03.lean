theorem lwr_36 : (tb_316[36]?.map (fun ch => ch.2.all lwRow)) = some true := by decide +kernel
theorem lwr_37 : (tb_316[37]?.map (fun ch => ch.2.all lwRow)) = some true := by decide +kernel
theorem lwr_38 : (tb_316[38]?.map (fun ch => ch.2.all lwRow)) = some true := by decide +kernel
theorem lwr_39 : (tb_316[39]?.map (fun ch => ch.2.all lwRow)) = some true := by decide +kernel
theorem lwr_40 : (tb_316[40]?.map (fun ch => ch.2.all lwRow)) = some true := by decide +kernel
theorem lwr_41 : (tb_316[41]?.map (fun ch => ch.2.all lwRow)) = some true := by decide +kernel
theorem lwr_42 : (tb_316[42]?.map (fun ch => ch.2.all lwRow)) = some true := by decide +kernel
theorem lwr_43 : (tb_316[43]?.map (fun ch => ch.2.all lwRow)) = some true := by decide +kernel
